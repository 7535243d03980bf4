/** All that an object tells of itself, as one text. */
final class Look {
    private Look() {
    }

    /** At most 104 calls, none of which changes anything. */
    static String at(NineCats cats) {
        StringBuilder s = new StringBuilder("count");
        for (int what = 0; what <= 4; what++) {
            s.append(' ').append(cats.count(what));
        }
        s.append(", now");
        for (int what = 0; what <= 5; what++) {
            s.append(' ').append(cats.now(what));
        }
        for (int k = 0; k < cats.count(2); k++) {
            s.append(", cat ").append(k).append(':');
            for (int what = 0; what <= 3; what++) {
                s.append(' ').append(cats.cat(k, what));
            }
        }
        int cells = cats.count(0) * cats.count(1);
        for (int c = 0; c < cells; c++) {
            s.append(", cell ").append(c).append(':');
            for (int what = 0; what <= 2; what++) {
                s.append(' ').append(cats.cell(c, what));
            }
        }
        return s.append(", trace ").append(cats.trace()).toString();
    }

    /** What can be seen only by changing it, too: the images and what THE TEXT tells. */
    static String through(NineCats cats) {
        StringBuilder s = new StringBuilder(at(cats));
        for (int image = 0; image <= 1; image++) {
            s.append("\n  back ").append(cats.back(image)).append(": ").append(at(cats));
        }
        return s.append("\n  bridge ").append(cats.bridge()).append(": ").append(at(cats)).toString();
    }
}
