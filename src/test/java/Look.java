import java.util.LinkedHashMap;
import java.util.Map;

/** All that can be asked of a heap. A look has 105 calls and one for each word. */
final class Look {
    private Look() {
    }

    static Map<String, Long> at(KeptHeap heap) {
        Map<String, Long> seen = new LinkedHashMap<>();
        for (int what = 0; what <= 8; what++) {
            seen.put("count(" + what + ")", (long) heap.count(what));
        }
        for (int word = 0; word < seen.get("count(8)"); word++) {
            seen.put("at(" + word + ")", (long) heap.at(word));
        }
        for (int root = 0; root < 16; root++) {
            for (int what = 0; what <= 4; what++) {
                seen.put("object(" + root + ", " + what + ")", (long) heap.object(root, what));
            }
            seen.put("sum(" + root + ")", heap.sum(root));
        }
        return seen;
    }
}
