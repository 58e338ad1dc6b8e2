/** Brings texts to a ChalkRoom the way a caller must: twenty bytes a call, and then how many count. */
final class Texts {
    private Texts() {
    }

    /** The five ints of feed() for the bytes from a place on; 0s behind the text's end. */
    static int[] twenty(String text, int from) {
        int[] ints = new int[5];
        for (int i = 0; i < 20; i++) {
            int sign = from + i < text.length() ? text.charAt(from + i) & 255 : 0;
            ints[i / 4] = ints[i / 4] << 8 | sign;
        }
        return ints;
    }

    static void feed(ChalkRoom room, String text) {
        for (int from = 0; from < text.length(); from += 20) {
            int[] v = twenty(text, from);
            room.feed(v[0], v[1], v[2], v[3], v[4]);
        }
    }

    static int room(ChalkRoom room, String text) {
        feed(room, text);
        return room.room(text.length());
    }

    static int talks(ChalkRoom room, String text) {
        feed(room, text);
        return room.talks(text.length());
    }
}
