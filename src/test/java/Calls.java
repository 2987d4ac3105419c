/** A call by its name, so that tests can hold calls in tables, and what a call may be looked at by. */
final class Calls {
    private Calls() {
    }

    static int ask(CoatTraces x, String name, int... a) {
        switch (name) {
            case "told": return x.told(a[0]);
            case "person": return x.person(a[0], a[1]);
            case "quarter": return x.quarter(a[0], a[1], a[2]);
            case "kin": return x.kin(a[0], a[1], a[2]);
            case "would": return x.would(a[0], a[1]);
            case "dated": return x.dated(a[0], a[1]);
            case "signAt": return x.signAt(a[0]);
            case "put": return x.put(a[0], a[1], a[2], a[3]);
            case "born": return x.born(a[0], a[1], a[2]);
            case "died": return x.died(a[0], a[1], a[2]);
            case "rule": return x.rule(a[0]);
            case "sign": return x.sign(a[0]);
            case "wipe": return x.wipe();
            case "drift": return x.drift(a[0]);
            case "undo": return x.undo(a[0]);
            case "write": return x.write(a[0], a[1], a[2]);
            case "tear": return x.tear();
            case "seed": return x.seed(a[0]);
            case "keep": return x.keep(a[0]);
            case "goBack": return x.goBack(a[0]);
            default: throw new IllegalArgumentException(name);
        }
    }

    static String text(String name, int... a) {
        StringBuilder s = new StringBuilder(name).append('(');
        for (int i = 0; i < a.length; i++) {
            s.append(i == 0 ? "" : ", ").append(a[i]);
        }
        return s.append(')').toString();
    }
}
