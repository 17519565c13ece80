import java.util.Random;

/** Makes texts of rows, most of them right and fitting, some of them spoiled. */
final class TextMaker {
    private static final String SIGNS = "kkpslyobindcastrep()x,  /0123456789tog2fb";
    private final Random random;

    TextMaker(Random random) {
        this.random = random;
    }

    String row(int loops) {
        String text;
        do {
            text = freeRow(loops);
        } while (text.length() > 200);
        return text;
    }

    private String freeRow(int loops) {
        StringBuilder row = new StringBuilder(chance(8) ? "cast" + (1 + random.nextInt(3)) + "," : "");
        int items = random.nextInt(6);
        for (int i = 0; i < items; i++) {
            row.append(item(chance(2) ? random.nextInt(7) : 0)).append(",");
        }
        row.append(ending(loops));
        String text = chance(4) ? blanks(row) : row.toString();
        return chance(3) ? spoiled(text) : text;
    }

    private String ending(int loops) {
        switch (random.nextInt(6)) {
            case 0:
                return "rep(" + item(2) + "," + item(0) + ")to last " + random.nextInt(4) + ",k";
            case 1:
                return "rep(k)to last 4,rep(" + item(1) + ")to last 0";
            case 2:
                return "k" + (1 + random.nextInt(Math.max(1, loops)));
            case 3:
                return "rep(k2tog)to last " + random.nextInt(2) + ",yo" + (1 + random.nextInt(9));
            default:
                return "rep(" + "kp".charAt(random.nextInt(2)) + ")tolast0";
        }
    }

    private String item(int depth) {
        if (depth > 0 && !chance(3)) {
            String inner = item(depth - 1) + (chance(2) ? "," + item(depth - 1) : "");
            return "(" + inner + ")x" + (2 + random.nextInt(chance(9) ? 98 : 3));
        }
        String[] names = {"k", "p", "sl", "yo", "bind", "k2", "p3", "yo2", "bind2", "k2tog", "ssk", "k3tog", "kfb"};
        if (chance(6)) {
            return "c" + (1 + random.nextInt(3)) + "/" + (1 + random.nextInt(3)) + "fb".charAt(random.nextInt(2));
        }
        return names[random.nextInt(names.length)];
    }

    private static String blanks(CharSequence row) {
        return row.toString().replace(",", " ,  ").replace("(", "( ").replace(")", " ) ");
    }

    private String spoiled(String text) {
        StringBuilder row = new StringBuilder(text);
        int place = random.nextInt(text.length());
        char sign = SIGNS.charAt(random.nextInt(SIGNS.length()));
        switch (random.nextInt(4)) {
            case 0:
                row.insert(place, sign);
                break;
            case 1:
                row.deleteCharAt(place);
                break;
            case 2:
                row.setCharAt(place, sign);
                break;
            default:
                row.setLength(place);
                break;
        }
        return row.toString();
    }

    /** Few kinds of stitches, many groups, and yo and bind to make the row long. */
    String nested() {
        String text;
        do {
            text = nestedItems(4);
        } while (text.length() > 200);
        return text;
    }

    private String nestedItems(int depth) {
        String[] names = {"k", "yo,bind", "yo", "bind,yo", "bind", "p", "yo2", "bind2,yo2"};
        StringBuilder text = new StringBuilder();
        int count = 1 + random.nextInt(3);
        for (int i = 0; i < count; i++) {
            String item = depth > 0 && chance(2)
                ? "(" + nestedItems(depth - 1) + ")x" + (2 + random.nextInt(chance(3) ? 20 : 2))
                : names[random.nextInt(names.length)];
            text.append(i == 0 ? "" : ",").append(item);
        }
        return text.toString();
    }

    /** Signs and pieces with no thought of the grammar. */
    String heap() {
        String[] pieces = {"k", "2", "tog", "t", "(", "(", ")", "x", "x2", "x1", "0", ",", ",", " ", "rep", "rep(k)",
            "to", "last", "c", "1/2f", "cast", "a", "yo", "s", "l", "sk", "bind", "f", "b", "p", "(k)x2", "/"};
        StringBuilder text = new StringBuilder();
        int count = random.nextInt(12);
        for (int i = 0; i < count; i++) {
            text.append(pieces[random.nextInt(pieces.length)]);
        }
        return text.toString();
    }

    boolean chance(int oneIn) {
        return random.nextInt(oneIn) == 0;
    }
}
