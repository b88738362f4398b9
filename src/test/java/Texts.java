import java.util.Random;

/** Texts without FAULT, drawn: few or many statements, sparse or dense, cheap or dear. */
final class Texts {
    private static final int MOST_LETTERS = 200;

    private Texts() {
    }

    static String any(Random random) {
        int size = 2 + random.nextInt(9);
        int nights = 1 + random.nextInt(Math.min(3, size - 1));
        int dear = random.nextInt(3) == 0 ? 20 : 1 + random.nextInt(4);
        boolean[] night = new boolean[size];
        for (int i = 0; i < nights; i++) {
            night[1 + random.nextInt(size - 1)] = true;
        }
        StringBuilder text = new StringBuilder();
        for (int a = 0; a < size; a++) {
            int kind = night[a] ? 4 : random.nextInt(4);
            text.append('s').append(kind).append(',').append(random.nextInt(dear + 1)).append(',')
                    .append(random.nextInt(dear + 1)).append(';');
        }
        text.append("v0;");
        int more = random.nextInt(3);
        for (int i = 0; i < more; i++) {
            int v = random.nextInt(size);
            add(text, night[v] ? "" : "v" + v + ";");
        }
        int people = random.nextInt(6);
        int kept = MOST_LETTERS - 5 * people;
        int edges = 1 + random.nextInt(3 * size + 1);
        for (int i = 0; i < edges; i++) {
            int a = random.nextInt(size);
            int b = random.nextInt(size);
            if (!night[a] && a != b && text.length() + 5 <= kept) {
                add(text, "r" + a + "," + b + ";");
            }
        }
        for (int p = 0; p < people; p++) {
            add(text, "p" + aNight(random, night) + "," + aNight(random, night) + ";");
        }
        return text.toString();
    }

    private static void add(StringBuilder text, String item) {
        if (text.length() + item.length() <= MOST_LETTERS) {
            text.append(item);
        }
    }

    private static int aNight(Random random, boolean[] night) {
        int a = random.nextInt(night.length);
        while (!night[a]) {
            a = (a + 1) % night.length;
        }
        return a;
    }
}
