import java.util.Random;

/** Texts by draws for TOWNS and RULES: most without a FAULT, some with a byte or two gone wrong. */
final class Texts {
    private final Random random;

    Texts(Random random) {
        this.random = random;
    }

    int upTo(int most) {
        return random.nextInt(most + 1);
    }

    private String blank() {
        return random.nextInt(12) == 0 ? "  " : " ";
    }

    /** Lively ones have elder ones accused, long years and seldom a narrow bench: most can be heard by somebody. */
    String town(int mostPeople, int mostCases) {
        StringBuilder text = new StringBuilder();
        boolean lively = random.nextInt(4) != 0;
        boolean old = random.nextInt(8) == 0;
        int base = old ? 9900 : random.nextInt(300);
        int span = old ? 99 : 20 + random.nextInt(200);
        text.append("town").append(blank()).append(1 + upTo(random.nextInt(4) == 0 && !lively ? 98 : 9)).append(blank());
        text.append(lively ? 9 + upTo(60) : 5 + upTo(random.nextInt(3) == 0 ? 94 : 25));
        int people = lively ? 2 + upTo(mostPeople - 2) : upTo(mostPeople);
        int bench = random.nextInt(lively ? 8 : 3);
        if (bench == 0) {
            text.append(bench(base, span));
        }
        int[] ages = new int[people];
        for (int i = 0; i < people; i++) {
            ages[i] = Math.min(9999, base + upTo(span));
            text.append(";person ").append(ages[i]).append(blank()).append(upTo(9));
            text.append(blank()).append(upTo(9));
        }
        if (people > 1) {
            for (int i = upTo(2) * upTo(lively ? 1 : 2); i > 0; i--) {
                int one = upTo(people - 1);
                text.append(";twins ").append(one).append(blank()).append((one + 1 + upTo(people - 2)) % people);
            }
        }
        for (int i = people == 0 ? 0 : upTo(mostCases); i > 0; i--) {
            text.append(";case ").append(accused(ages, lively)).append(blank()).append(1 + upTo(8)).append(blank());
            text.append(1 + upTo(random.nextInt(3) == 0 ? 8 : 3)).append(blank());
            text.append(upTo(random.nextInt(4) == 0 ? lively ? 20 : 99 : 5));
        }
        if (bench == 1) {
            text.append(bench(base, span));
        }
        return text.toString();
    }

    private int accused(int[] ages, boolean lively) {
        int one = upTo(ages.length - 1);
        for (int i = lively ? 2 : 0; i > 0; i--) {
            int other = upTo(ages.length - 1);
            one = ages[other] > ages[one] ? other : one;
        }
        return one;
    }

    private String bench(int base, int span) {
        int first = Math.min(9999, base + upTo(span / 2));
        return ";bench " + first + " " + Math.min(9999, first + upTo(span));
    }

    String rule(int mostClauses) {
        StringBuilder text = new StringBuilder();
        int clauses = 1 + upTo(mostClauses - 1);
        for (int i = 0; i < clauses; i++) {
            text.append(i == 0 ? "" : ";").append("right ");
            sum(text, 4);
            if (random.nextInt(4) != 0) {
                text.append(" if ");
                test(text, random.nextInt(6) == 0 ? 12 : 3);
            }
        }
        return text.toString();
    }

    private void sum(StringBuilder text, int most) {
        value(text);
        for (int i = upTo(most); i > 0; i--) {
            text.append(random.nextBoolean() ? " " : "").append("+-*/%".charAt(upTo(4)));
            text.append(random.nextBoolean() ? " " : "");
            value(text);
        }
    }

    private void value(StringBuilder text) {
        int kind = random.nextInt(10);
        if (kind < 3) {
            text.append(upTo(12));
        } else if (kind == 3) {
            text.append(upTo(99999));
        } else {
            text.append(Oracle.WORDS.get(upTo(11)));
        }
    }

    private void test(StringBuilder text, int deep) {
        fact(text, deep);
        for (int i = random.nextInt(4) - 1; i > 0; i--) {
            text.append(random.nextBoolean() ? " and " : " or ");
            fact(text, deep);
        }
    }

    private void fact(StringBuilder text, int deep) {
        int kind = deep <= 0 ? 9 : random.nextInt(deep > 5 ? 4 : 10);
        if (kind < 2) {
            text.append("not ");
            fact(text, deep - 1);
        } else if (kind < 4) {
            text.append('[');
            test(text, deep - 1);
            text.append(']');
        } else {
            sum(text, 1);
            text.append(new String[] {"<", "<=", "=", ">=", ">"}[upTo(4)]);
            sum(text, 1);
        }
    }

    /** Deep, long or crowded beyond what is allowed, or just not. */
    String edge() {
        StringBuilder text = new StringBuilder("right 1");
        int kind = upTo(4);
        if (kind == 0) {
            for (int i = 50 + upTo(20); i > 0; i--) {
                text.append("+1");
            }
            text.append(random.nextBoolean() ? " if 1=1" : ";right 5");
        } else if (kind == 1) {
            text.append(" if ");
            for (int i = 15 + upTo(8); i > 0; i--) {
                text.append("1<2 and ");
            }
            text.append("1=1");
        } else if (kind == 2) {
            text.append(" if ");
            int deep = 8 + upTo(4);
            StringBuilder close = new StringBuilder();
            for (int i = 0; i < deep; i++) {
                boolean not = random.nextBoolean();
                text.append(not ? "not " : "[");
                close.append(not ? "" : "]");
            }
            text.append("wit=day").append(close).append(" or [not 1=1]");
        } else if (kind == 3) {
            for (int i = 8 + upTo(6); i > 0; i--) {
                text.append(";right ").append(upTo(9)).append(" if wit=").append(upTo(9));
            }
        } else {
            text.append("+").append(upTo(1) == 0 ? "12345" : "123456").append(upTo(1) == 0 ? "" : "7");
        }
        return text.toString();
    }

    String crowd() {
        StringBuilder text = new StringBuilder("town 1 9");
        for (int i = 5 + upTo(3); i > 0; i--) {
            text.append(";person ").append(upTo(60)).append(" 1 1");
        }
        for (int i = 2 + upTo(3); i > 0; i--) {
            text.append(";twins ").append(upTo(3)).append(' ').append(4 + upTo(2));
        }
        for (int i = 3 + upTo(4); i > 0; i--) {
            text.append(";case ").append(upTo(5)).append(" 1 1 0");
        }
        return text.toString();
    }

    String spoilt(String text) {
        StringBuilder spoilt = new StringBuilder(text);
        String bytes = " ;[]<>=+-*/%0123456789aeinort" + (char) 0 + (char) 65 + (char) 200 + (char) 255;
        for (int i = 1 + upTo(1); i > 0; i--) {
            int at = upTo(spoilt.length());
            int kind = upTo(3);
            char sign = bytes.charAt(upTo(bytes.length() - 1));
            if (kind == 0 || at == spoilt.length()) {
                spoilt.insert(at, sign);
            } else if (kind == 1) {
                spoilt.deleteCharAt(at);
            } else if (kind == 2) {
                spoilt.setCharAt(at, sign);
            } else if (upTo(2) == 0) {
                spoilt.setLength(at);
            } else {
                spoilt.insert(at, new String[] {"not ", " or ", "wit", " if ", ";", "town 1 5", "person", "12"}[upTo(7)]);
            }
        }
        return spoilt.toString();
    }
}
