/** The calls of the face by their names, on the class and on the model. */
final class Calls {
    private Calls() {}

    static Object ofClass(Spanwarden x, String method, Object[] a) {
        switch (method) {
            case "put":
                return x.put((int) a[0], (int) a[1], (int) a[2]);
            case "value":
                return x.value((int) a[0], (int) a[1]);
            case "remove":
                return x.remove((int) a[0], (int) a[1]);
            case "near":
                return x.near((int) a[0], (int) a[1], (char) a[2]);
            case "end":
                return x.end((int) a[0], (boolean) a[1]);
            case "poll":
                return x.poll((int) a[0], (boolean) a[1]);
            case "polled":
                return x.polled();
            case "drain":
                return x.drain((int) a[0], (boolean) a[1]);
            case "drained":
                return x.drained((int) a[0]);
            case "size":
                return x.size((int) a[0]);
            case "keyAt":
                return x.keyAt((int) a[0], (int) a[1], (boolean) a[2]);
            case "mark":
                return x.mark((int) a[0]);
            case "isLike":
                return x.isLike((int) a[0], (int) a[1]);
            case "open":
                return x.open(
                        (int) a[0], (int) a[1], (int) a[2], (boolean) a[3], (int) a[4],
                        (boolean) a[5]);
            case "cut":
                return x.cut((int) a[0], (int) a[1], (boolean) a[2], (int) a[3], (boolean) a[4]);
            case "viewPut":
                return x.viewPut((int) a[0], (int) a[1], (int) a[2]);
            case "viewRemove":
                return x.viewRemove((int) a[0], (int) a[1]);
            case "viewNear":
                return x.viewNear((int) a[0], (int) a[1], (char) a[2]);
            case "viewEnd":
                return x.viewEnd((int) a[0], (boolean) a[1]);
            case "viewPoll":
                return x.viewPoll((int) a[0], (boolean) a[1]);
            case "viewClear":
                return x.viewClear((int) a[0]);
            case "viewSize":
                return x.viewSize((int) a[0]);
            case "lies":
                return x.lies((int) a[0], (int) a[1]);
            case "step":
                return x.step((int) a[0], (char) a[1], (int) a[2], (int) a[3]);
            case "forget":
                return x.forget((int) a[0]);
            case "play":
                return x.play((int) a[0], (int) a[1]);
            case "playBoth":
                return x.playBoth((int) a[0], (int) a[1], (int) a[2], (int) a[3]);
            case "meet":
                return x.meet((int) a[0], (int) a[1]);
            case "opposite":
                return x.opposite((int) a[0], (int) a[1], (int) a[2]);
            case "combine":
                return x.combine((int) a[0], (int) a[1], (char) a[2]);
            case "fullShare":
                return x.fullShare((int) a[0]);
            case "meanKey":
                return x.meanKey((int) a[0]);
            case "checksum":
                return x.checksum();
            case "isSound":
                return x.isSound();
            default:
                throw new AssertionError(method);
        }
    }

    static Object ofModel(Model x, String method, Object[] a) {
        switch (method) {
            case "put":
                return x.put((int) a[0], (int) a[1], (int) a[2]);
            case "value":
                return x.value((int) a[0], (int) a[1]);
            case "remove":
                return x.remove((int) a[0], (int) a[1]);
            case "near":
                return x.near((int) a[0], (int) a[1], (char) a[2]);
            case "end":
                return x.end((int) a[0], (boolean) a[1]);
            case "poll":
                return x.poll((int) a[0], (boolean) a[1]);
            case "polled":
                return x.polled();
            case "drain":
                return x.drain((int) a[0], (boolean) a[1]);
            case "drained":
                return x.drained((int) a[0]);
            case "size":
                return x.size((int) a[0]);
            case "keyAt":
                return x.keyAt((int) a[0], (int) a[1], (boolean) a[2]);
            case "mark":
                return x.mark((int) a[0]);
            case "isLike":
                return x.isLike((int) a[0], (int) a[1]);
            case "open":
                return x.open(
                        (int) a[0], (int) a[1], (int) a[2], (boolean) a[3], (int) a[4],
                        (boolean) a[5]);
            case "cut":
                return x.cut((int) a[0], (int) a[1], (boolean) a[2], (int) a[3], (boolean) a[4]);
            case "viewPut":
                return x.viewPut((int) a[0], (int) a[1], (int) a[2]);
            case "viewRemove":
                return x.viewRemove((int) a[0], (int) a[1]);
            case "viewNear":
                return x.viewNear((int) a[0], (int) a[1], (char) a[2]);
            case "viewEnd":
                return x.viewEnd((int) a[0], (boolean) a[1]);
            case "viewPoll":
                return x.viewPoll((int) a[0], (boolean) a[1]);
            case "viewClear":
                return x.viewClear((int) a[0]);
            case "viewSize":
                return x.viewSize((int) a[0]);
            case "lies":
                return x.lies((int) a[0], (int) a[1]);
            case "step":
                return x.step((int) a[0], (char) a[1], (int) a[2], (int) a[3]);
            case "forget":
                return x.forget((int) a[0]);
            case "play":
                return x.play((int) a[0], (int) a[1]);
            case "playBoth":
                return x.playBoth((int) a[0], (int) a[1], (int) a[2], (int) a[3]);
            case "meet":
                return x.meet((int) a[0], (int) a[1]);
            case "opposite":
                return x.opposite((int) a[0], (int) a[1], (int) a[2]);
            case "combine":
                return x.combine((int) a[0], (int) a[1], (char) a[2]);
            case "fullShare":
                return x.fullShare((int) a[0]);
            case "meanKey":
                return x.meanKey((int) a[0]);
            case "checksum":
                return x.checksum();
            case "isSound":
                return x.isSound();
            default:
                throw new AssertionError(method);
        }
    }
}
