import java.util.Random;

/** Texts at random: right ones, and spoilt ones. */
final class Texts {
    private Texts() {
    }

    static String city(Random random) {
        for (int tries = 0; tries < 100; tries++) {
            String city = anyCity(random);
            if (city.length() <= 240) {
                return city;
            }
        }
        return "n;n";
    }

    private static String anyCity(Random random) {
        StringBuilder text = new StringBuilder();
        int names = random.nextInt(2, 9);
        int ties = random.nextInt(random.nextBoolean() ? 4 : 11);
        int many = random.nextInt(7);
        int cut = random.nextInt(3) == 0 ? random.nextInt(1, 100) : 40;
        boolean isSquare = cut != 40 || random.nextBoolean();
        for (int i = 0; i < names; i++) {
            name(text, random, many, cut);
        }
        for (int i = 0; i < ties; i++) {
            int a = random.nextInt(names);
            int b = (a + random.nextInt(1, names)) % names;
            text.append("t");
            if (a != 0 || random.nextBoolean()) {
                text.append("a").append(a);
            }
            if (b != 1 || random.nextBoolean()) {
                text.append(blank(random)).append("b").append(random.nextInt(5) == 0 ? "0" : "").append(b);
            }
            text.append(";");
        }
        if (isSquare) {
            square(text, random, cut);
        }
        text.setLength(text.length() - 1);
        return shuffled(text.toString(), random);
    }

    /** Clauses may stand in any order; NAMES keep theirs by coming out as they come. */
    private static String shuffled(String text, Random random) {
        java.util.List<String> clauses = new java.util.ArrayList<>(java.util.List.of(text.split(";")));
        if (random.nextBoolean()) {
            java.util.Collections.shuffle(clauses, random);
        }
        return blank(random) + String.join(blank(random) + ";" + blank(random), clauses) + blank(random);
    }

    private static String blank(Random random) {
        return random.nextInt(25) == 0 ? " ".repeat(random.nextInt(1, 3)) : "";
    }

    private static void square(StringBuilder text, Random random, int cut) {
        text.append("s");
        if (cut != 40) {
            text.append("c").append(cut);
        }
        if (random.nextBoolean()) {
            text.append("r").append(random.nextInt(10));
        }
        if (random.nextBoolean()) {
            text.append("h").append(random.nextInt(1, 7));
        }
        if (random.nextBoolean()) {
            text.append("d").append(random.nextInt(1, 5));
        }
        text.append(";");
    }

    private static void name(StringBuilder text, Random random, int many, int cut) {
        text.append("n");
        String[] items = {"v" + random.nextInt(10), "k" + random.nextInt(4), "g" + random.nextInt(3),
            "p" + random.nextInt(random.nextBoolean() ? 10 : 100), "w" + random.nextInt(10)};
        java.util.List<String> order = new java.util.ArrayList<>(java.util.List.of(items));
        order.removeIf(item -> random.nextInt(6) >= many);
        if (cut < 20 || random.nextInt(3) > 0) {
            order.add("i" + random.nextInt(1, cut + 1));
        }
        java.util.Collections.shuffle(order, random);
        text.append(String.join(blank(random), order)).append(";");
    }

    static String law(Random random) {
        for (int tries = 0; tries < 100; tries++) {
            StringBuilder law = new StringBuilder();
            for (int clauses = random.nextInt(1, 4); clauses > 0; clauses--) {
                law.append("y").append(blank(random)).append(":").append(blank(random));
                if (random.nextInt(3) > 0) {
                    condition(law, random, 0);
                    law.append("?");
                }
                sum(law, random, 0);
                law.append(clauses > 1 ? ";" : "");
            }
            if (law.length() <= 240) {
                return law.toString();
            }
        }
        return "y:r+k";
    }

    private static void condition(StringBuilder law, Random random, int nested) {
        unit(law, random, nested);
        for (int more = random.nextInt(6) - 3; more > 0; more--) {
            law.append(random.nextBoolean() ? "&" : "|").append(blank(random));
            unit(law, random, nested);
        }
    }

    private static void unit(StringBuilder law, Random random, int nested) {
        int kind = random.nextInt(5 + nested);
        if (kind == 0 && nested < 6) {
            law.append("!").append(blank(random));
            unit(law, random, nested + 1);
        } else if (kind == 1 && nested < 6) {
            law.append("(").append(blank(random));
            condition(law, random, nested + 1);
            law.append(")").append(blank(random));
        } else {
            sum(law, random, nested);
            law.append("=<>".charAt(random.nextInt(3)));
            sum(law, random, nested);
        }
    }

    private static void sum(StringBuilder law, Random random, int nested) {
        atom(law, random, nested);
        for (int more = random.nextInt(6) - 3; more > 0; more--) {
            law.append("+-*/+-*".charAt(random.nextInt(7))).append(blank(random));
            atom(law, random, nested);
        }
    }

    private static void atom(StringBuilder law, Random random, int nested) {
        int kind = random.nextInt(7);
        if (kind == 0 && nested < 6) {
            law.append("[");
            sum(law, random, nested + 1);
            law.append("]");
        } else if (kind < 5) {
            law.append("dkrysp".charAt(random.nextInt(6)));
        } else {
            law.append(random.nextInt(4) == 0 ? random.nextInt(10000) : random.nextInt(7));
        }
        law.append(blank(random));
    }

    static String spoilt(String text, Random random) {
        String signs = "snt;rchdvkgpwiab0123456789 y:?&|!()[]=<>+-*/dkrysp\u0001\u007f\u0080\u00ff";
        int at = random.nextInt(text.length() + 1);
        int kind = random.nextInt(4);
        char sign = signs.charAt(random.nextInt(signs.length()));
        if (kind == 0 || at == text.length()) {
            return text.substring(0, at) + sign + text.substring(at);
        }
        if (kind == 1) {
            return text.substring(0, at);
        }
        return text.substring(0, at) + (kind == 2 ? "" : "" + sign) + text.substring(at + 1);
    }
}
