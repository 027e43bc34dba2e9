import java.util.List;
import java.util.Random;

/** Texts of laws: most of them right, some with a byte that is altered, left out or put in. */
final class RandomTexts {
    private RandomTexts() { }

    static String text(Random random) {
        StringBuilder text = new StringBuilder();
        int clauses = random.nextInt(20) == 0 ? 12 : random.nextInt(7);
        for (int i = 0; i < clauses; i++) clause(random, text);
        if (text.length() > 200) text.setLength(200);
        if (text.length() > 0 && random.nextInt(5) == 0) spoil(random, text);
        return text.toString();
    }

    private static void clause(Random random, StringBuilder text) {
        String key = Model.KEYS.get(random.nextInt(7));
        List<String> values = Model.VALUES.get(key);
        text.append(key).append(' ').append(values.get(random.nextInt(values.size())));
        if (random.nextInt(2) == 0) {
            text.append(" if ");
            any(random, text, random.nextInt(25) == 0 ? 4 : 3, 1);
        }
        text.append(random.nextBoolean() ? ";" : " ; ");
    }

    private static void any(Random random, StringBuilder text, int deep, int many) {
        all(random, text, deep, many);
        for (int i = 0; i < many && random.nextInt(3) == 0; i++) {
            text.append(" or ");
            all(random, text, deep, many);
        }
    }

    private static void all(Random random, StringBuilder text, int deep, int many) {
        one(random, text, deep, many);
        for (int i = 0; i < many && random.nextInt(3) == 0; i++) {
            text.append(" and ");
            one(random, text, deep, many);
        }
    }

    private static void one(Random random, StringBuilder text, int deep, int many) {
        if (random.nextInt(4) == 0) text.append("not ");
        if (deep > 0 && random.nextInt(4) == 0) {
            text.append('(');
            any(random, text, deep - 1, many + 1);
            text.append(')');
            return;
        }
        value(random, text);
        text.append("<=>".charAt(random.nextInt(3)));
        value(random, text);
    }

    private static void value(Random random, StringBuilder text) {
        if (random.nextInt(5) < 3) text.append(Model.FACTS.get(random.nextInt(6)));
        else text.append(random.nextInt(random.nextInt(30) == 0 ? 20000 : 13));
    }

    private static void spoil(Random random, StringBuilder text) {
        int at = random.nextInt(text.length());
        char sign = "az09 ;()<=>!\t\u00e9\0".charAt(random.nextInt(15));
        switch (random.nextInt(4)) {
            case 0: text.setCharAt(at, sign); break;
            case 1: text.deleteCharAt(at); break;
            case 2: if (text.length() < 200) text.insert(at, sign); break;
            default: text.setLength(at);
        }
    }
}
