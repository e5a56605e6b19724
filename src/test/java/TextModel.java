import java.util.ArrayList;
import java.util.List;
import java.util.Map;

/** The texts of the document by other means: a CITY sign by sign, a LAW by all that may be due, WORTH by cutting. */
final class TextModel {
    private TextModel() {
    }

    /** Walks a CITY byte by byte and knows only what the last ones were. */
    static int cityFault(String text) {
        String letters = null;
        String told = "";
        char letter = 0;
        String number = null;
        int last = -1;
        int squares = 0;
        int ties = 0;
        List<Integer> depths = new ArrayList<>();
        List<int[]> tied = new ArrayList<>();
        int cut = 40;
        for (int at = 0; at <= text.length(); at++) {
            char sign = at < text.length() ? text.charAt(at) : ';';
            boolean isDigit = sign >= '0' && sign <= '9';
            if (number != null && !number.isEmpty() && last == at - 1 && isDigit) {
                if (number.length() == 2) {
                    return at;
                }
                number += sign;
                last = at;
                continue;
            }
            if (number != null && !number.isEmpty()) {
                int value = Integer.parseInt(number);
                if (!isWithin(letters, letter, value)) {
                    return last;
                }
                if (letter == 'i') {
                    depths.set(depths.size() - 1, value);
                } else if (letter == 'c') {
                    cut = value;
                } else if (letter == 'a' || letter == 'b') {
                    tied.get(ties - 1)[letter - 'a'] = value;
                }
                number = null;
            }
            if (sign == ' ') {
                continue;
            }
            if (number != null) {
                if (!isDigit) {
                    return at;
                }
                number = "" + sign;
                last = at;
            } else if (letters == null) {
                if (sign == 's' && squares == 0) {
                    letters = "rchd";
                    squares++;
                } else if (sign == 'n' && depths.size() < 8) {
                    letters = "vkgpwi";
                    depths.add(20);
                } else if (sign == 't' && ties < 10) {
                    letters = "ab";
                    tied.add(new int[] {0, 1});
                    ties++;
                } else {
                    return at;
                }
                told = "";
            } else if (sign == ';') {
                if (at < text.length()) {
                    letters = null;
                }
            } else if (letters.indexOf(sign) >= 0 && told.indexOf(sign) < 0) {
                told += sign;
                letter = sign;
                number = "";
            } else {
                return at;
            }
        }
        boolean isWhole = depths.size() >= 2;
        for (int depth : depths) {
            isWhole &= depth <= cut;
        }
        for (int[] tie : tied) {
            isWhole &= tie[0] != tie[1] && tie[0] < depths.size() && tie[1] < depths.size();
        }
        return isWhole ? -1 : text.length();
    }

    private static boolean isWithin(String letters, char letter, int value) {
        Map<String, int[]> bounds = Map.ofEntries(Map.entry("rchd:r", new int[] {0, 9}),
                Map.entry("rchd:c", new int[] {1, 99}), Map.entry("rchd:h", new int[] {1, 6}),
                Map.entry("rchd:d", new int[] {1, 4}), Map.entry("vkgpwi:v", new int[] {0, 9}),
                Map.entry("vkgpwi:k", new int[] {0, 3}), Map.entry("vkgpwi:g", new int[] {0, 4}),
                Map.entry("vkgpwi:p", new int[] {0, 99}), Map.entry("vkgpwi:w", new int[] {0, 9}),
                Map.entry("vkgpwi:i", new int[] {1, 99}), Map.entry("ab:a", new int[] {0, 7}),
                Map.entry("ab:b", new int[] {0, 7}));
        int[] within = bounds.get(letters + ":" + letter);
        return value >= within[0] && value <= within[1];
    }

    /** What is still due, the first thing first: a sign as itself, all else by a capital with its nesting behind it. */
    private record Due(String first, Due rest) { }

    private static Due due(Due rest, String... things) {
        Due due = rest;
        for (int i = things.length - 1; i >= 0; i--) {
            due = new Due(things[i], due);
        }
        return due;
    }

    static int lawFault(String text) {
        List<Due> ways = List.of(due(null, "L0", "R0"));
        for (int at = 0; at < text.length(); at++) {
            List<Due> next = new ArrayList<>();
            for (Due way : ways) {
                step(way, text.charAt(at), next);
            }
            if (next.isEmpty()) {
                return at;
            }
            ways = next;
        }
        for (Due way : ways) {
            if (canEnd(way)) {
                return -1;
            }
        }
        return text.length();
    }

    private static boolean canEnd(Due way) {
        for (Due due = way; due != null; due = due.rest) {
            if (!"RVWXYZ".contains(due.first.substring(0, 1)) && due.first.charAt(0) != 'N') {
                return false;
            }
        }
        return true;
    }

    private static void step(Due way, char sign, List<Due> next) {
        if (way == null) {
            if (sign == ' ') {
                next.add(null);
            }
            return;
        }
        char first = way.first.charAt(0);
        boolean isDigit = sign >= '0' && sign <= '9';
        if (first == 'N') {
            int digitsLeft = way.first.charAt(1) - '0';
            if (!isDigit) {
                step(way.rest, sign, next);
            } else if (digitsLeft > 0) {
                next.add(due(way.rest, "N" + (digitsLeft - 1)));
            }
            return;
        }
        if (sign == ' ') {
            next.add(way);
            return;
        }
        if (way.first.length() == 1) {
            if (first == sign) {
                next.add(way.rest);
            }
            return;
        }
        int nested = way.first.charAt(1) - '0';
        for (String[] other : others(first, nested, sign)) {
            if (other.length > 0 && other[0].equals("digit")) {
                if (isDigit) {
                    next.add(due(way.rest, "N3"));
                }
            } else {
                step(due(way.rest, other), sign, next);
            }
        }
    }

    private static String[][] others(char what, int n, char sign) {
        String deeper = "" + (n + 1);
        switch (what) {
            case 'L':
                return new String[][] {{"y", ":", "C0", "?", "S0"}, {"y", ":", "S0"}};
            case 'R':
                return new String[][] {{}, {";", "L0", "R0"}};
            case 'C':
                return new String[][] {{"T" + n, "V" + n}};
            case 'V':
                return new String[][] {{}, {"|", "T" + n, "V" + n}};
            case 'T':
                return new String[][] {{"U" + n, "W" + n}};
            case 'W':
                return new String[][] {{}, {"&", "U" + n, "W" + n}};
            case 'U':
                if (sign == '!' || sign == '(') {
                    return n == 6 ? new String[0][] : new String[][] {{"!", "U" + deeper}, {"(", "C" + deeper, ")"}};
                }
                return new String[][] {{"S" + n, "Q" + n, "S" + n}};
            case 'Q':
                return new String[][] {{"="}, {"<"}, {">"}};
            case 'S':
                return new String[][] {{"M" + n, "X" + n}};
            case 'X':
                return new String[][] {{}, {"+", "M" + n, "X" + n}, {"-", "M" + n, "X" + n}};
            case 'M':
                return new String[][] {{"A" + n, "Y" + n}};
            case 'Y':
                return new String[][] {{}, {"*", "A" + n, "Y" + n}, {"/", "A" + n, "Y" + n}};
            default:
                if (sign == '[') {
                    return n == 6 ? new String[0][] : new String[][] {{"[", "S" + deeper, "]"}};
                }
                return new String[][] {{"digit"}, {"d"}, {"k"}, {"r"}, {"y"}, {"s"}, {"p"}};
        }
    }

    /** WORTH of a LAW without blanks and without FAULT. */
    static int worth(String law, Map<Character, Integer> letters) {
        for (String clause : law.split(";")) {
            String rest = clause.substring(2);
            int mark = rest.indexOf('?');
            if (mark < 0 || holds(rest.substring(0, mark), letters)) {
                return (int) sum(rest.substring(mark + 1), letters);
            }
        }
        return 0;
    }

    /** The last of these signs that stands in no brackets. */
    private static int lastOf(String text, String signs) {
        int open = 0;
        for (int at = text.length() - 1; at >= 0; at--) {
            char sign = text.charAt(at);
            open += sign == ')' || sign == ']' ? 1 : sign == '(' || sign == '[' ? -1 : 0;
            if (open == 0 && signs.indexOf(sign) >= 0) {
                return at;
            }
        }
        return -1;
    }

    private static boolean holds(String text, Map<Character, Integer> letters) {
        for (String sign : new String[] {"|", "&"}) {
            int at = lastOf(text, sign);
            if (at >= 0) {
                boolean left = holds(text.substring(0, at), letters);
                boolean right = holds(text.substring(at + 1), letters);
                return sign.equals("|") ? left || right : left && right;
            }
        }
        if (text.charAt(0) == '!') {
            return !holds(text.substring(1), letters);
        }
        if (text.charAt(0) == '(') {
            return holds(text.substring(1, text.length() - 1), letters);
        }
        int at = lastOf(text, "=<>");
        long left = sum(text.substring(0, at), letters);
        long right = sum(text.substring(at + 1), letters);
        return text.charAt(at) == '=' ? left == right : text.charAt(at) == '<' ? left < right : left > right;
    }

    private static long sum(String text, Map<Character, Integer> letters) {
        for (String signs : new String[] {"+-", "*/"}) {
            int at = lastOf(text, signs);
            if (at >= 0) {
                long left = sum(text.substring(0, at), letters);
                long right = sum(text.substring(at + 1), letters);
                char sign = text.charAt(at);
                long value = sign == '+' ? left + right : sign == '-' ? left - right : sign == '*' ? left * right
                        : right == 0 ? 0 : left / right;
                return Math.max(-1000000, Math.min(1000000, value));
            }
        }
        if (text.charAt(0) == '[') {
            return sum(text.substring(1, text.length() - 1), letters);
        }
        return letters.containsKey(text.charAt(0)) ? letters.get(text.charAt(0)) : Integer.parseInt(text);
    }
}
