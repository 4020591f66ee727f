import java.util.ArrayList;
import java.util.Comparator;
import java.util.HashSet;
import java.util.LinkedHashMap;
import java.util.LinkedHashSet;
import java.util.List;
import java.util.Map;
import java.util.Set;

/**
 * The document written down a second time, as slowly and plainly as can be: objects are known by
 * their names alone, and everything else is looked up. ModelTest holds KeptHeap against it.
 */
final class NaiveHeap {
    private static final int NONE = -1;
    private static final int BAD = -2;
    private static final int REFUSED = -3;
    private static final int FULL = -4;

    /** A field holds a Long (a number) or an Integer (the name of an object). */
    private final Map<Integer, Object[]> fields = new LinkedHashMap<>();
    private final Map<Integer, Integer> addresses = new LinkedHashMap<>();
    private final Set<Integer> remembered = new HashSet<>();
    private final Integer[] roots = new Integer[16];
    private final int keeper;
    private final int w;
    private int half = 0;
    private int made = 0;
    private int collections = 0;
    private int minors = 0;
    private int moves = 0;

    NaiveHeap(int keeper, int words) {
        this.keeper = keeper == 1 || keeper == 2 ? keeper : 0;
        int most = words < 16 ? 16 : words > 400 ? 400 : words;
        this.w = most / 4 * 4;
    }

    int make(int root, int n) {
        if (badRoot(root) || n < 0 || n > 6) {
            return BAD;
        }
        if (made == 2000) {
            return FULL;
        }
        int place = placeForNew(n + 1);
        if (place < 0) {
            if (keeper != 2) {
                collect();
            } else if (n + 1 <= w / 4 && minor() == FULL) {
                collect();
            }
            place = placeForNew(n + 1);
        }
        if (place < 0) {
            return FULL;
        }
        Object[] row = new Object[n];
        java.util.Arrays.fill(row, 0L);
        fields.put(made, row);
        addresses.put(made, place);
        roots[root] = made;
        return made++;
    }

    int set(int root, int field, int v) {
        int trouble = trouble(root, field);
        if (trouble == 0) {
            fields.get(roots[root])[field] = (long) v;
        }
        return trouble;
    }

    int link(int root, int field, int to) {
        int trouble = badRoot(to) ? BAD : trouble(root, field);
        if (trouble != 0) {
            return trouble;
        }
        if (roots[to] == null) {
            return REFUSED;
        }
        fields.get(roots[root])[field] = roots[to];
        if (old(roots[root]) && !old(roots[to]) && keeper == 2) {
            remembered.add(roots[root]);
        }
        return 0;
    }

    int refers(int root, int field) {
        int trouble = trouble(root, field);
        return trouble != 0 ? trouble : fields.get(roots[root])[field] instanceof Integer ? 1 : 0;
    }

    int number(int root, int field) {
        if (trouble(root, field) != 0) {
            return 0;
        }
        Object held = fields.get(roots[root])[field];
        return held instanceof Long ? (int) (long) (Long) held : 0;
    }

    int load(int root, int from, int field) {
        int trouble = badRoot(root) ? BAD : trouble(from, field);
        if (trouble != 0) {
            return trouble;
        }
        Object held = fields.get(roots[from])[field];
        if (held instanceof Long) {
            return REFUSED;
        }
        roots[root] = (Integer) held;
        return roots[root];
    }

    int copy(int root, int from) {
        if (badRoot(root) || badRoot(from)) {
            return BAD;
        }
        roots[root] = roots[from];
        return roots[root] == null ? NONE : roots[root];
    }

    int drop(int root) {
        if (badRoot(root)) {
            return BAD;
        }
        int was = roots[root] == null ? 0 : 1;
        roots[root] = null;
        return was;
    }

    int collect() {
        collections++;
        List<Integer> reached = reached(rootNames());
        int before = fields.size();
        if (keeper == 0) {
            fields.keySet().retainAll(reached);
            addresses.keySet().retainAll(reached);
            return before - fields.size();
        }
        if (keeper == 1) {
            fields.keySet().retainAll(reached);
            addresses.clear();
            half = 1 - half;
            int next = half * (w / 2);
            for (int name : reached) {
                addresses.put(name, next);
                next += size(name);
                moves++;
            }
            return before - fields.size();
        }
        for (int name : new ArrayList<>(fields.keySet())) {
            if (old(name) && !reached.contains(name)) {
                forgetWholly(name);
            }
        }
        int gone = before - fields.size();
        int more = minor();
        return more == FULL ? FULL : gone + more;
    }

    int minor() {
        if (keeper != 2) {
            return BAD;
        }
        Map<Integer, Integer> planned = new LinkedHashMap<>();
        for (int name : youngThatGoOver()) {
            int place = leastOldPlace(planned, size(name));
            if (place < 0) {
                return FULL;
            }
            planned.put(name, place);
        }
        int gone = 0;
        for (int name : new ArrayList<>(fields.keySet())) {
            if (!old(name) && !planned.containsKey(name)) {
                forgetWholly(name);
                gone++;
            }
        }
        addresses.putAll(planned);
        moves += planned.size();
        remembered.clear();
        minors++;
        return gone;
    }

    int object(int root, int what) {
        if (badRoot(root) || what < 0 || what > 4) {
            return BAD;
        }
        Integer name = roots[root];
        if (name == null) {
            return REFUSED;
        }
        int[] answers = {name, addresses.get(name), fields.get(name).length,
            keeper == 2 && old(name) ? 1 : 0, remembered.contains(name) ? 1 : 0};
        return answers[what];
    }

    int at(int word) {
        return word < 0 || word >= w ? BAD : whoLiesAt(addresses, word);
    }

    int count(int what) {
        if (what < 0 || what > 8) {
            return BAD;
        }
        int words = 0;
        for (int name : fields.keySet()) {
            words += size(name);
        }
        int[] answers = {fields.size(), words, made, collections, minors, moves,
            remembered.size(), reached(rootNames()).size(), w};
        return answers[what];
    }

    int same(int one, int other) {
        if (badRoot(one) || badRoot(other)) {
            return BAD;
        }
        return java.util.Objects.equals(roots[one], roots[other]) ? 1 : 0;
    }

    long sum(int root) {
        if (badRoot(root)) {
            return BAD;
        }
        if (roots[root] == null) {
            return 0;
        }
        List<Integer> all = reached(List.of(roots[root]));
        long s = 7;
        for (int name : all) {
            s = 31 * s + fields.get(name).length;
            for (Object held : fields.get(name)) {
                s = 31 * s + (held instanceof Long ? 2 * (Long) held : 2L * all.indexOf(held) + 1);
            }
        }
        return s;
    }

    private static boolean badRoot(int root) {
        return root < 0 || root > 15;
    }

    private int trouble(int root, int field) {
        if (badRoot(root) || field < 0 || field > 5) {
            return BAD;
        }
        if (roots[root] == null) {
            return REFUSED;
        }
        return field < fields.get(roots[root]).length ? 0 : BAD;
    }

    private int size(int name) {
        return fields.get(name).length + 1;
    }

    private boolean old(int name) {
        return addresses.get(name) >= w / 4;
    }

    private void forgetWholly(int name) {
        fields.remove(name);
        addresses.remove(name);
        remembered.remove(name);
    }

    private List<Integer> rootNames() {
        List<Integer> names = new ArrayList<>();
        for (Integer name : roots) {
            if (name != null) {
                names.add(name);
            }
        }
        return names;
    }

    private List<Integer> reached(List<Integer> from) {
        List<Integer> all = new ArrayList<>(new LinkedHashSet<>(from));
        for (int i = 0; i < all.size(); i++) {
            for (Object held : fields.get(all.get(i))) {
                if (held instanceof Integer && !all.contains(held)) {
                    all.add((Integer) held);
                }
            }
        }
        return all;
    }

    private List<Integer> youngThatGoOver() {
        List<Integer> all = new ArrayList<>();
        for (int name : rootNames()) {
            addIfYoung(all, name);
        }
        List<Integer> holders = new ArrayList<>(remembered);
        holders.sort(Comparator.comparing(addresses::get));
        for (int holder : holders) {
            for (Object held : fields.get(holder)) {
                addIfYoung(all, held);
            }
        }
        for (int i = 0; i < all.size(); i++) {
            for (Object held : fields.get(all.get(i))) {
                addIfYoung(all, held);
            }
        }
        return all;
    }

    private void addIfYoung(List<Integer> all, Object held) {
        if (held instanceof Integer && !old((Integer) held) && !all.contains(held)) {
            all.add((Integer) held);
        }
    }

    private int whoLiesAt(Map<Integer, Integer> places, int word) {
        for (Map.Entry<Integer, Integer> place : places.entrySet()) {
            int start = place.getValue();
            if (word >= start && word < start + size(place.getKey())) {
                return place.getKey();
            }
        }
        return NONE;
    }

    private boolean free(Map<Integer, Integer> planned, int start, int size) {
        for (int word = start; word < start + size; word++) {
            if (whoLiesAt(addresses, word) != NONE || whoLiesAt(planned, word) != NONE) {
                return false;
            }
        }
        return true;
    }

    private int leastPlace(Map<Integer, Integer> planned, int from, int size) {
        for (int start = from; start + size <= w; start++) {
            if (free(planned, start, size)) {
                return start;
            }
        }
        return NONE;
    }

    private int leastOldPlace(Map<Integer, Integer> planned, int size) {
        return leastPlace(planned, w / 4, size);
    }

    private int placeForNew(int size) {
        if (keeper == 0) {
            return leastPlace(Map.of(), 0, size);
        }
        int start = keeper == 1 ? half * (w / 2) : 0;
        int end = keeper == 1 ? start + w / 2 : w / 4;
        int next = start;
        for (int name : fields.keySet()) {
            if (addresses.get(name) < end) {
                next = Math.max(next, addresses.get(name) + size(name));
            }
        }
        return next + size <= end ? next : NONE;
    }
}
