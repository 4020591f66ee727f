/**
 * A heap of objects that refer to one another, kept by one of three keepers: one marks what is
 * reached and sweeps the rest, one copies what is reached to the other half, one has a part for
 * the young and a part for the old.
 */
public final class KeptHeap {
    public static final int NONE = -1;
    public static final int BAD = -2;
    public static final int REFUSED = -3;
    public static final int FULL = -4;

    private static final int LEAST_WORDS = 16;
    private static final int MOST_WORDS = 400;
    private static final int MOST_FIELDS = 6;
    private static final int MOST_MADE = 2000;
    private static final int ROOT_COUNT = 16;

    private final Words words;
    private final Roots roots;
    private final Keeper keeper;
    private int made;

    public KeptHeap(int keeper, int words) {
        Words row = new Words(wordsFor(words));
        Roots refs = new Roots();
        this.words = row;
        this.roots = refs;
        this.keeper = keeperFor(keeper, row, refs);
        this.made = 0;
    }

    public int make(int root, int n) {
        if (!roots.has(root) || n < 0 || n > MOST_FIELDS) {
            return BAD;
        }
        if (made >= MOST_MADE) {
            return FULL;
        }
        int address = keeper.take(n + 1);
        if (address == NONE) {
            keeper.clearRoomFor(n + 1);
            address = keeper.take(n + 1);
        }
        if (address == NONE) {
            return FULL;
        }
        Thing thing = new Thing(made, n);
        made++;
        words.put(thing, address);
        roots.refer(root, thing);
        return thing.name;
    }

    public int set(int root, int field, int v) {
        Thing holder = holderOf(root, field);
        if (holder == null) {
            return whyNoHolder(root, field);
        }
        holder.hold(field, v, null);
        return 0;
    }

    public int link(int root, int field, int to) {
        if (!roots.has(to)) {
            return BAD;
        }
        Thing holder = holderOf(root, field);
        if (holder == null) {
            return whyNoHolder(root, field);
        }
        Thing target = roots.thingOf(to);
        if (target == null) {
            return REFUSED;
        }
        holder.hold(field, 0, target);
        if (keeper.isOld(holder) && !keeper.isOld(target)) {
            holder.remembered = true;
        }
        return 0;
    }

    public int refers(int root, int field) {
        Thing holder = holderOf(root, field);
        if (holder == null) {
            return whyNoHolder(root, field);
        }
        return asNumber(holder.targetOf(field) != null);
    }

    public int number(int root, int field) {
        Thing holder = holderOf(root, field);
        return holder == null ? 0 : holder.numberOf(field);
    }

    public int load(int root, int from, int field) {
        if (!roots.has(root)) {
            return BAD;
        }
        Thing holder = holderOf(from, field);
        if (holder == null) {
            return whyNoHolder(from, field);
        }
        Thing target = holder.targetOf(field);
        if (target == null) {
            return REFUSED;
        }
        roots.refer(root, target);
        return target.name;
    }

    public int copy(int root, int from) {
        if (!roots.has(root) || !roots.has(from)) {
            return BAD;
        }
        Thing thing = roots.thingOf(from);
        roots.refer(root, thing);
        return nameOf(thing);
    }

    public int drop(int root) {
        if (!roots.has(root)) {
            return BAD;
        }
        boolean referred = roots.thingOf(root) != null;
        roots.refer(root, null);
        return asNumber(referred);
    }

    public int collect() {
        return keeper.gather();
    }

    public int minor() {
        return keeper.gatherYoung();
    }

    public int object(int root, int what) {
        if (!roots.has(root) || what < 0 || what > 4) {
            return BAD;
        }
        Thing thing = roots.thingOf(root);
        if (thing == null) {
            return REFUSED;
        }
        switch (what) {
            case 0:
                return thing.name;
            case 1:
                return thing.address;
            case 2:
                return thing.fields();
            case 3:
                return asNumber(keeper.isOld(thing));
            default:
                return asNumber(thing.remembered);
        }
    }

    public int at(int word) {
        if (word < 0 || word >= words.length()) {
            return BAD;
        }
        return nameOf(words.lyingAt(word));
    }

    public int count(int what) {
        switch (what) {
            case 0:
                return words.thingsBelow(words.length());
            case 1:
                return words.taken();
            case 2:
                return made;
            case 3:
                return keeper.gathered;
            case 4:
                return keeper.gatheredYoung;
            case 5:
                return keeper.moved;
            case 6:
                return words.rememberedThings();
            case 7:
                return keeper.reachedThings();
            case 8:
                return words.length();
            default:
                return BAD;
        }
    }

    public int same(int one, int other) {
        if (!roots.has(one) || !roots.has(other)) {
            return BAD;
        }
        return asNumber(roots.thingOf(one) == roots.thingOf(other));
    }

    public long sum(int root) {
        if (!roots.has(root)) {
            return BAD;
        }
        Thing thing = roots.thingOf(root);
        return thing == null ? 0L : keeper.sumFrom(thing);
    }

    private static int wordsFor(int words) {
        int bounded = Math.max(LEAST_WORDS, Math.min(MOST_WORDS, words));
        return bounded - bounded % 4;
    }

    private static Keeper keeperFor(int kind, Words words, Roots roots) {
        switch (kind) {
            case 1:
                return new Copier(words, roots);
            case 2:
                return new Ager(words, roots);
            default:
                return new Sweeper(words, roots);
        }
    }

    private static int asNumber(boolean yes) {
        return yes ? 1 : 0;
    }

    private static int nameOf(Thing thing) {
        return thing == null ? NONE : thing.name;
    }

    /** The root's object if it has the field, else null. */
    private Thing holderOf(int root, int field) {
        Thing thing = roots.thingOf(root);
        return thing != null && thing.has(field) ? thing : null;
    }

    /** Only for a root and a field for which there is no holder. */
    private int whyNoHolder(int root, int field) {
        if (!roots.has(root) || field < 0 || field >= MOST_FIELDS) {
            return BAD;
        }
        return roots.thingOf(root) == null ? REFUSED : BAD;
    }

    /** An object of the heap. */
    private static final class Thing {
        final int name;
        private final int[] numbers;
        private final Thing[] targets;
        int address;
        boolean remembered;
        // The old address that MINOR has in mind for it before all have found room.
        int place;
        // The walk that met it latest, and how many that walk had met before it.
        int walk;
        int order;

        Thing(int name, int fields) {
            int length = Math.max(0, fields);
            this.name = name;
            this.numbers = new int[length];
            this.targets = new Thing[length];
            this.address = 0;
            this.remembered = false;
            this.place = 0;
            this.walk = 0;
            this.order = 0;
        }

        int fields() {
            return numbers.length;
        }

        int size() {
            return numbers.length + 1;
        }

        boolean has(int field) {
            return field >= 0 && field < numbers.length;
        }

        int numberOf(int field) {
            return field >= 0 && field < numbers.length ? numbers[field] : 0;
        }

        Thing targetOf(int field) {
            return field >= 0 && field < targets.length ? targets[field] : null;
        }

        void hold(int field, int number, Thing target) {
            if (has(field)) {
                numbers[field] = number;
                targets[field] = target;
            }
        }
    }

    /** What the roots refer to. */
    private static final class Roots {
        private final Thing[] things;

        Roots() {
            this.things = new Thing[ROOT_COUNT];
        }

        boolean has(int root) {
            return root >= 0 && root < things.length;
        }

        Thing thingOf(int root) {
            return has(root) ? things[root] : null;
        }

        void refer(int root, Thing thing) {
            if (has(root)) {
                things[root] = thing;
            }
        }
    }

    /** The words of the heap, each with the object that lies there. */
    private static final class Words {
        private final Thing[] things;

        Words(int length) {
            this.things = new Thing[Math.max(0, length)];
        }

        int length() {
            return things.length;
        }

        Thing lyingAt(int word) {
            return word >= 0 && word < things.length ? things[word] : null;
        }

        /** The object whose address the word is, else null. */
        Thing beginningAt(int word) {
            Thing thing = lyingAt(word);
            return thing != null && thing.address == word ? thing : null;
        }

        void put(Thing thing, int address) {
            thing.address = address;
            fill(address, thing.size(), thing);
        }

        /** The words alone: the object's address stays what it was. */
        void fill(int from, int size, Thing thing) {
            int start = Math.max(0, from);
            int end = Math.min(things.length, start + size);
            for (int word = start; word < end; word++) {
                things[word] = thing;
            }
        }

        /** The least address of so many free words, all of them from a word on, else NONE. */
        int gapFrom(int from, int size) {
            int free = 0;
            for (int word = Math.max(0, from); word < things.length; word++) {
                free = things[word] == null ? free + 1 : 0;
                if (free == size) {
                    return word - size + 1;
                }
            }
            return NONE;
        }

        int thingsBelow(int end) {
            int number = 0;
            for (int word = 0; word < end && word < things.length; word++) {
                if (beginningAt(word) != null) {
                    number++;
                }
            }
            return number;
        }

        int taken() {
            int number = 0;
            for (int word = 0; word < things.length; word++) {
                if (things[word] != null) {
                    number++;
                }
            }
            return number;
        }

        int rememberedThings() {
            int number = 0;
            for (int word = 0; word < things.length; word++) {
                Thing thing = beginningAt(word);
                if (thing != null && thing.remembered) {
                    number++;
                }
            }
            return number;
        }
    }

    /** A part of the words in which each object comes behind the latest one. */
    private static final class Part {
        private int next;
        private int end;

        Part(int start, int size) {
            this.next = start;
            this.end = start + size;
        }

        void restart(int start, int size) {
            this.next = start;
            this.end = start + size;
        }

        /** The address behind the latest one, else NONE. */
        int take(int size) {
            if (next + size > end) {
                return NONE;
            }
            int address = next;
            next += size;
            return address;
        }
    }

    /** Objects in the order in which they are come to, each once. */
    private static final class Walk {
        private final Thing[] met;
        private int size;
        private int current;
        private int end;

        /** As every object has a word, a walk meets no more of them than there are words. */
        Walk(int words) {
            this.met = new Thing[Math.max(0, words)];
            this.size = 0;
            this.current = 0;
            this.end = 0;
        }

        /** A new walk that meets only objects with addresses below an end. */
        void begin(int end) {
            this.current++;
            this.size = 0;
            this.end = end;
        }

        void meet(Thing thing) {
            if (thing == null || thing.address >= end || thing.walk == current) {
                return;
            }
            if (size >= 0 && size < met.length) {
                thing.walk = current;
                thing.order = size;
                met[size] = thing;
                size++;
            }
        }

        void meetTargetsOf(Thing thing) {
            if (thing == null) {
                return;
            }
            for (int field = 0; field < thing.fields(); field++) {
                meet(thing.targetOf(field));
            }
        }

        void meetRoots(Roots roots) {
            for (int root = 0; root < ROOT_COUNT; root++) {
                meet(roots.thingOf(root));
            }
        }

        /** Those met here come behind the others, so that the loop comes to them too. */
        void follow() {
            for (int i = 0; i < size && i < met.length; i++) {
                meetTargetsOf(met[i]);
            }
        }

        boolean hasMet(Thing thing) {
            return thing.walk == current;
        }

        int size() {
            return size;
        }

        Thing thingOf(int order) {
            return order >= 0 && order < size && order < met.length ? met[order] : null;
        }
    }

    /** What the three keepers have in common. */
    private abstract static class Keeper {
        final Words words;
        final Roots roots;
        final Walk walk;
        int gathered;
        int gatheredYoung;
        int moved;

        Keeper(Words words, Roots roots) {
            this.words = words;
            this.roots = roots;
            this.walk = new Walk(words.length());
            this.gathered = 0;
            this.gatheredYoung = 0;
            this.moved = 0;
        }

        /** The address for a new object of so many words, else NONE. */
        abstract int take(int size);

        /** What is done if there is no room for a new object. */
        abstract void clearRoomFor(int size);

        /** TO COLLECT: how many objects went, or FULL. */
        abstract int gather();

        /** MINOR: how many objects went, or FULL. */
        int gatherYoung() {
            return BAD;
        }

        boolean isOld(Thing thing) {
            return false;
        }

        int reachedThings() {
            walkFromRoots();
            return walk.size();
        }

        void walkFromRoots() {
            walk.begin(words.length());
            walk.meetRoots(roots);
            walk.follow();
        }

        /** Objects from an address on that the latest walk has not met go: how many. */
        int sweepFrom(int from) {
            int went = 0;
            for (int word = from; word < words.length(); word++) {
                Thing thing = words.beginningAt(word);
                if (thing != null && !walk.hasMet(thing)) {
                    words.fill(word, thing.size(), null);
                    went++;
                }
            }
            return went;
        }

        long sumFrom(Thing first) {
            walk.begin(words.length());
            walk.meet(first);
            walk.follow();
            long s = 7L;
            for (int i = 0; i < walk.size(); i++) {
                Thing thing = walk.thingOf(i);
                if (thing != null) {
                    s = sumWith(s, thing);
                }
            }
            return s;
        }

        private static long sumWith(long before, Thing thing) {
            long s = 31L * before + thing.fields();
            for (int field = 0; field < thing.fields(); field++) {
                Thing target = thing.targetOf(field);
                long part = target == null ? 2L * thing.numberOf(field) : 2L * target.order + 1L;
                s = 31L * s + part;
            }
            return s;
        }
    }

    /** Keeper 0: marks what is reached and sweeps the rest. */
    private static final class Sweeper extends Keeper {
        Sweeper(Words words, Roots roots) {
            super(words, roots);
        }

        int take(int size) {
            return words.gapFrom(0, size);
        }

        void clearRoomFor(int size) {
            gather();
        }

        int gather() {
            gathered++;
            walkFromRoots();
            return sweepFrom(0);
        }
    }

    /** Keeper 1: copies what is reached to the other half. */
    private static final class Copier extends Keeper {
        private final int half;
        private final Part inUse;
        private int start;

        Copier(Words words, Roots roots) {
            super(words, roots);
            this.half = words.length() / 2;
            this.inUse = new Part(0, half);
            this.start = 0;
        }

        int take(int size) {
            return inUse.take(size);
        }

        void clearRoomFor(int size) {
            gather();
        }

        int gather() {
            gathered++;
            int before = words.thingsBelow(words.length());
            walkFromRoots();
            words.fill(0, words.length(), null);
            start = start == 0 ? half : 0;
            inUse.restart(start, half);
            for (int i = 0; i < walk.size(); i++) {
                Thing thing = walk.thingOf(i);
                if (thing != null) {
                    words.put(thing, inUse.take(thing.size()));
                    moved++;
                }
            }
            return before - walk.size();
        }
    }

    /** Keeper 2: has a part for the young and a part for the old. */
    private static final class Ager extends Keeper {
        private final int oldStart;
        private final Part young;

        Ager(Words words, Roots roots) {
            super(words, roots);
            this.oldStart = words.length() / 4;
            this.young = new Part(0, oldStart);
        }

        int take(int size) {
            return young.take(size);
        }

        void clearRoomFor(int size) {
            if (size <= oldStart && gatherYoung() == FULL) {
                gather();
            }
        }

        boolean isOld(Thing thing) {
            return thing.address >= oldStart;
        }

        int gather() {
            gathered++;
            walkFromRoots();
            int oldOnes = sweepFrom(oldStart);
            int youngOnes = gatherYoung();
            return youngOnes == FULL ? FULL : oldOnes + youngOnes;
        }

        int gatherYoung() {
            walk.begin(oldStart);
            walk.meetRoots(roots);
            meetByRemembered();
            walk.follow();
            int placed = reserve();
            if (placed < walk.size()) {
                giveBack(placed);
                return FULL;
            }
            int before = words.thingsBelow(oldStart);
            words.fill(0, oldStart, null);
            goOver();
            forget();
            young.restart(0, oldStart);
            gatheredYoung++;
            return before - placed;
        }

        private void meetByRemembered() {
            for (int word = oldStart; word < words.length(); word++) {
                Thing thing = words.beginningAt(word);
                if (thing != null && thing.remembered) {
                    walk.meetTargetsOf(thing);
                }
            }
        }

        /** Takes old words for what the walk met, in its order: how many found room. */
        private int reserve() {
            for (int i = 0; i < walk.size(); i++) {
                Thing thing = walk.thingOf(i);
                int place = thing == null ? NONE : words.gapFrom(oldStart, thing.size());
                if (thing == null || place == NONE) {
                    return i;
                }
                thing.place = place;
                words.fill(place, thing.size(), thing);
            }
            return walk.size();
        }

        private void giveBack(int placed) {
            for (int i = 0; i < placed; i++) {
                Thing thing = walk.thingOf(i);
                if (thing != null) {
                    words.fill(thing.place, thing.size(), null);
                }
            }
        }

        private void goOver() {
            for (int i = 0; i < walk.size(); i++) {
                Thing thing = walk.thingOf(i);
                if (thing != null) {
                    thing.address = thing.place;
                    moved++;
                }
            }
        }

        private void forget() {
            for (int word = oldStart; word < words.length(); word++) {
                Thing thing = words.beginningAt(word);
                if (thing != null) {
                    thing.remembered = false;
                }
            }
        }
    }
}
